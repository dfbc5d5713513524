import java.io.IOException;
import java.lang.reflect.Constructor;
import java.lang.reflect.Field;
import java.lang.reflect.Method;
import java.lang.reflect.Modifier;
import java.nio.file.Files;
import java.nio.file.Path;
import java.util.Set;
import java.util.TreeSet;

/** The public face, and those rules of LANGUAGE.md that can be seen from outside or from the words of the source. */
public final class FaceTest {
    private static final String[] METHODS = {
        "int fold(int)", "int set(int,int)", "int told(int)", "int run(int,int)", "int stands(int,int)",
        "int page(int,int,int)", "int turned(int,int,int)", "int creep(int,int)", "long share(int,int)",
        "int waits(int)", "int press(int)", "int clears(int)", "int line(int)", "int missing(int)", "int printed(int)",
        "int plan(int,int,int,int,int)", "int unplan(int)", "int planned(int,int)", "int plans()", "int proof(int)",
        "int see(int,int,int,int)", "int fits(int)", "int event(int,int)", "int after(int)", "int feed(int)", "int read()",
        "int judge(int,int,int)", "int image()", "int undo()", "int count(int)", "int tape(int,int,int)",
        "int item(int,int,long)", "long peek(int,int)", "int shift(int,int,int,int,int)"};
    private static final String[] FIELDS = {
        "int NONE -1", "int BAD -2", "int STATE -3", "int FULL -4", "int OVER -15", "long NO " + Long.MIN_VALUE};
    private static final String[] FORBIDDEN = {
        "\\bthrow\\b", "\\bthrows\\b", "\\btry\\b", "\\bcatch\\b", "\\bsynchronized\\b", "\\bassert\\b", "->", "::", "\\bpackage\\b",
        "\\bimport\\b", "\\bprotected\\b", "\\bstatic \\{", "Exact\\(", "\\bSystem\\.(?!arraycopy)", "\\bThread\\b", "\\bObject\\b",
        "\\bvolatile\\b", "\\bhashCode\\b", "\\btoString\\b"};
    private static final Check CHECK = new Check("FaceTest");

    public static void main(String[] args) throws Exception {
        theClass();
        members();
        inside();
        words();
        CHECK.end();
    }

    private static void theClass() {
        int how = PressSheets.class.getModifiers();
        CHECK.holds("public and final", Modifier.isPublic(how) && Modifier.isFinal(how));
        CHECK.holds("without a package", PressSheets.class.getPackageName().isEmpty());
        Constructor<?>[] all = PressSheets.class.getDeclaredConstructors();
        CHECK.due("constructors", all.length, 1);
        CHECK.holds("a public one without parameters", Modifier.isPublic(all[0].getModifiers()) && all[0].getParameterCount() == 0);
    }

    private static String told(Method method) {
        StringBuilder told = new StringBuilder(method.getReturnType() + " " + method.getName() + "(");
        for (Class<?> type : method.getParameterTypes()) {
            told.append(told.charAt(told.length() - 1) == '(' ? "" : ",").append(type);
        }
        return told.append(")").toString();
    }

    private static void members() throws IllegalAccessException {
        Set<String> methods = new TreeSet<>(), names = new TreeSet<>(), fields = new TreeSet<>();
        for (Method method : PressSheets.class.getDeclaredMethods()) {
            if (!Modifier.isPrivate(method.getModifiers())) {
                CHECK.holds("public, of objects: " + method, method.getModifiers() == Modifier.PUBLIC);
                methods.add(told(method));
                names.add(method.getName());
            }
        }
        CHECK.holds("methods are " + methods, methods.equals(new TreeSet<>(Set.of(METHODS))));
        for (Method method : PressSheets.class.getDeclaredMethods()) {
            CHECK.holds("no name of a public one: " + method,
                !Modifier.isPrivate(method.getModifiers()) || !names.contains(method.getName()));
        }
        for (Field field : PressSheets.class.getDeclaredFields()) {
            if (!Modifier.isPrivate(field.getModifiers())) {
                CHECK.due("a public constant: " + field, field.getModifiers(), Modifier.PUBLIC | Modifier.STATIC | Modifier.FINAL);
                fields.add(field.getType() + " " + field.getName() + " " + field.get(null));
            }
        }
        CHECK.holds("constants are " + fields, fields.equals(new TreeSet<>(Set.of(FIELDS))));
    }

    private static void inside() {
        Class<?>[] all = PressSheets.class.getDeclaredClasses();
        CHECK.holds("at most twelve classes", all.length < 12);
        for (Class<?> one : all) {
            int how = one.getModifiers();
            CHECK.holds("static, not public: " + one, Modifier.isStatic(how) && !Modifier.isPublic(how) && !Modifier.isProtected(how));
            for (Field field : one.getDeclaredFields()) {
                CHECK.holds("static fields are final: " + field,
                    !Modifier.isStatic(field.getModifiers()) || Modifier.isFinal(field.getModifiers()));
            }
            for (Method method : one.getDeclaredMethods()) {
                CHECK.holds("at most seven parameters: " + method, method.getParameterCount() <= 7);
            }
        }
    }

    private static void words() throws IOException {
        String source = Files.readString(Path.of("src/main/java/PressSheets.java"));
        String code = source.replaceAll("(?s)/\\*.*?\\*/", "").replaceAll("//[^\n]*", "");
        for (String word : FORBIDDEN) {
            CHECK.holds("no " + word, !java.util.regex.Pattern.compile(word).matcher(code).find());
        }
        CHECK.holds("signs 1 to 127 alone", source.chars().allMatch(sign -> sign >= 1 && sign <= 127));
    }
}
