import java.io.IOException;
import java.lang.reflect.Constructor;
import java.lang.reflect.Field;
import java.lang.reflect.Method;
import java.lang.reflect.Modifier;
import java.nio.file.Files;
import java.nio.file.Path;
import java.util.ArrayList;
import java.util.Arrays;
import java.util.Collections;
import java.util.HashSet;
import java.util.List;
import java.util.Set;
import java.util.regex.Matcher;
import java.util.regex.Pattern;

// The public face as the document has it, and those rules of LANGUAGE.md that a test can look at.
public final class FaceTest {
    static int wrong = 0;

    static final String[] METHODS = {
        "int setRates(int,int,int)", "int setThreshold(int)", "int open(int)", "int close(int)",
        "int receive(int,int)", "int pay(int,int)", "int transfer(int,int,int)", "int hold(int,int,int)",
        "int release(int)", "int bill(int,int)", "int settle(int)", "long pass(int)", "int reverse(int)",
        "int day()", "int clients()", "int ranked(int,int)", "int of(int,int)", "int holdOf(int,int)",
        "int billOf(int,int)", "int entries()", "int entry(int,int)", "long sum(int)", "int payableOn(int,int)",
        "int interestIn(int,int)", "int type(int)", "int clearText()", "int syntaxError()", "int carryOut()",
        "int undo()", "long digest()",
    };

    static final String[] CONSTANTS = {
        "NO_SUCH=-1", "BAD_VALUE=-2", "NOT_POSSIBLE=-3", "LIMIT=-4", "BAD_TEXT=-5", "NONE=-6",
    };

    static final String[] FORBIDDEN_WORDS = {
        "throw", "throws", "try", "catch", "finally", "synchronized", "assert", "import", "package", "native",
        "Object", "Random", "Thread", "Exception", "Error", "hashCode", "equals", "toString", "protected", "volatile",
    };

    static void check(boolean good, String complaint) {
        if (!good) {
            wrong++;
            System.out.println(complaint);
        }
    }

    static String signature(Method m) {
        StringBuilder s = new StringBuilder(m.getReturnType().getName() + " " + m.getName() + "(");
        Class<?>[] types = m.getParameterTypes();
        for (int i = 0; i < types.length; i++) {
            s.append(i == 0 ? "" : ",").append(types[i].getName());
        }
        return s.append(")").toString();
    }

    static void same(String what, List<String> got, String[] want) {
        List<String> expected = new ArrayList<>(Arrays.asList(want));
        Collections.sort(got);
        Collections.sort(expected);
        check(got.equals(expected), what + " are " + got + ", due are " + expected);
    }

    static void face() throws IllegalAccessException {
        Class<?> face = ClientMoneyBook.class;
        check(Modifier.isPublic(face.getModifiers()) && Modifier.isFinal(face.getModifiers()), "not public and final");
        check(face.getPackageName().isEmpty(), "it has a package");
        check(face.getInterfaces().length == 0 && face.getSuperclass() == Object.class, "it has a type above it");
        Set<String> names = new HashSet<>();
        List<String> methods = new ArrayList<>();
        for (Method m : face.getDeclaredMethods()) {
            if (Modifier.isPublic(m.getModifiers())) {
                names.add(m.getName());
                methods.add(signature(m));
                check(!Modifier.isStatic(m.getModifiers()), m + " is static");
                check(m.getExceptionTypes().length == 0, m + " throws");
            }
        }
        same("the public methods", methods, METHODS);
        for (Class<?> c : face.getDeclaredClasses()) {
            for (Method m : c.getDeclaredMethods()) {
                check(!names.contains(m.getName()), m + " bears the name of a public method");
            }
        }
        for (Method m : face.getDeclaredMethods()) {
            check(Modifier.isPublic(m.getModifiers()) || Modifier.isPrivate(m.getModifiers()) && !names.contains(m.getName()),
                m + " is neither of the face nor private with a name of its own");
        }
        List<String> constants = new ArrayList<>();
        for (Field f : face.getDeclaredFields()) {
            int modifiers = f.getModifiers();
            if (Modifier.isPublic(modifiers)) {
                check(Modifier.isStatic(modifiers) && Modifier.isFinal(modifiers) && f.getType() == int.class,
                    f + " is not a constant");
                constants.add(f.getName() + "=" + f.getInt(null));
            } else {
                check(Modifier.isPrivate(modifiers), f + " is not private");
            }
        }
        same("the constants", constants, CONSTANTS);
        Constructor<?>[] constructors = face.getDeclaredConstructors();
        check(constructors.length == 1 && Modifier.isPublic(constructors[0].getModifiers())
            && constructors[0].getParameterCount() == 0, "not one public constructor without arguments");
    }

    static void inside() {
        Class<?>[] all = ClientMoneyBook.class.getDeclaredClasses();
        check(all.length <= 11, "more than twelve classes");
        for (Class<?> c : all) {
            int modifiers = c.getModifiers();
            check(Modifier.isStatic(modifiers), c + " is not static");
            check(!Modifier.isPublic(modifiers) && !Modifier.isProtected(modifiers), c + " is visible");
        }
        List<Class<?>> classes = new ArrayList<>(Arrays.asList(all));
        classes.add(ClientMoneyBook.class);
        for (Class<?> c : classes) {
            int fields = 0;
            for (Field f : c.getDeclaredFields()) {
                if (Modifier.isStatic(f.getModifiers())) {
                    check(Modifier.isFinal(f.getModifiers()), f + " is static and not final");
                } else {
                    fields++;
                }
            }
            check(fields <= 20, c + " has " + fields + " fields");
            for (Method m : c.getDeclaredMethods()) {
                check(m.getParameterCount() <= 7, m + " takes more than seven parameters");
            }
        }
    }

    static void source() throws IOException {
        String text = Files.readString(Path.of("src/main/java/ClientMoneyBook.java"));
        String code = text.replaceAll("(?s)/\\*.*?\\*/", "").replaceAll("//[^\n]*", "");
        for (String word : FORBIDDEN_WORDS) {
            check(!Pattern.compile("\\b" + word + "\\b").matcher(code).find(), "the code has " + word);
        }
        check(!code.contains("->") && !code.contains("::"), "the code has a lambda or a method reference");
        check(text.chars().allMatch(c -> c == '\n' || c >= 32 && c < 127), "the text has another sign than plain ones");
        // what a run makes is counted: rows are made with the book, and never by a call
        Matcher made = Pattern.compile("(?m)^.*\\bnew\\b.*$").matcher(code);
        while (made.find()) {
            check(made.group().matches(" +(private )?final [A-Za-z]+(\\[\\])? [a-z]+ = new .*")
                || made.group().matches(" +(state|history|text|ranking|slots\\[i\\]) = new .*"),
                "an object that no constructor makes: " + made.group().trim());
        }
        int longest = 0;
        int start = 0;
        String[] lines = text.split("\n");
        for (int i = 0; i < lines.length; i++) {
            if (lines[i].matches(" {4}(?: {4})?\\S.*\\) \\{")) {
                start = i;
            } else if (lines[i].matches(" {4}(?: {4})?\\}") && start > 0) {
                longest = Math.max(longest, i - start + 1);
                start = 0;
            }
        }
        check(longest > 5 && longest <= 60, "the longest method has " + longest + " lines");
    }

    public static void main(String[] args) throws Exception {
        face();
        inside();
        source();
        System.out.println(wrong == 0 ? "the face and the rules are as due" : wrong + " complaints");
        if (wrong != 0) {
            System.exit(1);
        }
    }
}
