import java.lang.reflect.Constructor;
import java.lang.reflect.Field;
import java.lang.reflect.Method;
import java.lang.reflect.Modifier;
import java.nio.file.Files;
import java.nio.file.Path;
import java.util.ArrayList;
import java.util.List;
import java.util.TreeSet;
import java.util.regex.Matcher;
import java.util.regex.Pattern;

/** The face, and those rules of LANGUAGE.md that can be seen from the source or by reflection. */
public final class LanguageTest {
    private static final String FACE = "int status(); long top(); long bottom(); boolean tray(int,int,int); boolean write(int,int,long);"
            + "long read(int,int); boolean pour(int,int,int,int,int); int feed(int,int,int,int,int); int parish(int); int years(int);"
            + "int fault(int); int many(int); int chest(int); int right(int,int); int debt(int,int); int owes(int); int layAgo(int);"
            + "int clause(int,int); int witness(int,int); int copyWorth(int); int month(int); int carry(int,int);"
            + "int swear(int,int,int); int pay(int); int price(int,int); boolean grant(int,int,boolean);"
            + "int claim(int,int,int,int,int); boolean rule(int,int); int chestIn(int,int); int tollIn(); int bears();"
            + "int gain(int,int); int changes(int); int net(int); int best(int); int isSo(int,int); int howMany(int);"
            + "int bestOf(int); int even(); int rent(int); int rulings(); int rulingAt(int); int strike(); int strikeSet();"
            + "int sure(int); int game(int); int moveOf(int); boolean whose(int); boolean share(int); int live(int);"
            + "int lived(int); boolean mean(int,int); int mark(); int back()";

    public static void main(String[] args) throws Exception {
        face();
        members();
        source(Files.readString(Path.of("src/main/java/DitchSaint.java")));
        Due.end();
    }

    private static void face() {
        TreeSet<String> due = new TreeSet<>();
        for (String one : FACE.split(";")) {
            due.add(one.trim());
        }
        TreeSet<String> got = new TreeSet<>();
        for (Method method : DitchSaint.class.getDeclaredMethods()) {
            if (!Modifier.isPrivate(method.getModifiers())) {
                got.add(method.toString().replaceAll("public |DitchSaint\\.", ""));
            }
        }
        Due.yes("face " + got, due.equals(got));
        for (Field field : DitchSaint.class.getDeclaredFields()) {
            Due.yes("field " + field, field.getName().equals("NONE") || Modifier.isPrivate(field.getModifiers()));
        }
        Due.is("constructors", DitchSaint.class.getDeclaredConstructors().length, 1);
        for (Constructor<?> made : DitchSaint.class.getDeclaredConstructors()) {
            Due.yes("constructor " + made, Modifier.isPublic(made.getModifiers()) && made.getParameterCount() == 0);
        }
        Due.yes("final", Modifier.isFinal(DitchSaint.class.getModifiers()));
    }

    private static void members() {
        List<Class<?>> all = new ArrayList<>(List.of(DitchSaint.class.getDeclaredClasses()));
        Due.yes("some twelve classes", all.size() <= 12);
        TreeSet<String> names = new TreeSet<>();
        for (Method method : DitchSaint.class.getDeclaredMethods()) {
            if (Modifier.isPublic(method.getModifiers())) {
                Due.yes("once " + method, names.add(method.getName()));
            }
        }
        for (Method method : DitchSaint.class.getDeclaredMethods()) {
            boolean isPublic = Modifier.isPublic(method.getModifiers());
            Due.yes("name " + method, isPublic || !names.contains(method.getName()));
            Due.yes("parameters " + method, method.getParameterCount() <= 7);
        }
        for (Class<?> one : all) {
            Due.yes("static " + one, Modifier.isStatic(one.getModifiers()));
            for (Method method : one.getDeclaredMethods()) {
                Due.yes("name " + method, !names.contains(method.getName()));
                Due.yes("parameters " + method, method.getParameterCount() <= 7);
            }
        }
        all.add(DitchSaint.class);
        for (Class<?> one : all) {
            int fields = 0;
            for (Field field : one.getDeclaredFields()) {
                fields += Modifier.isStatic(field.getModifiers()) ? 0 : 1;
                Due.yes("static final " + field, !Modifier.isStatic(field.getModifiers()) || Modifier.isFinal(field.getModifiers()));
            }
            Due.yes("fields " + one + " " + fields, fields <= 20);
        }
    }

    private static void source(String whole) {
        String code = whole.replaceAll("(?s)/\\*.*?\\*/", "").replaceAll("//.*", "").replaceAll("\"[^\"]*\"", "\"\"");
        String[] banned = {"\\bthrow\\b", "\\bthrows\\b", "\\btry\\b", "\\bcatch\\b", "\\bsynchronized\\b", "\\bassert\\b", "->", "::",
            "\\bimport\\b", "\\bpackage\\b", "Exact\\b", "\\bprotected\\b", "\\bhashCode\\b", "\\btoString\\b", "\\bSystem\\.(?!arraycopy)",
            "\\bObject\\b", "\\bdouble\\b", "\\bfloat\\b", "\\bInteger\\.(?!bitCount)", "\\bMath\\.(?!min|max)"};
        for (String one : banned) {
            Matcher found = Pattern.compile(one).matcher(code);
            Due.yes("no " + one, !found.find());
        }
        Due.yes("signs 1 to 127", whole.chars().allMatch(c -> c > 0 && c < 128));
        lengths(whole.split("\n"));
    }

    /** A method begins where its header ends in "{", at the depth of its class, and ends at the "}" there. */
    private static void lengths(String[] lines) {
        Pattern header = Pattern.compile("^( {4}| {8})\\w[^=;]*\\) \\{$");
        for (int i = 0; i < lines.length; i++) {
            Matcher found = header.matcher(lines[i]);
            if (found.matches()) {
                int end = i;
                while (end < lines.length && !lines[end].equals(found.group(1) + "}")) {
                    end++;
                }
                Due.yes("short: " + lines[i].trim(), end - i <= 60);
            }
        }
    }
}
