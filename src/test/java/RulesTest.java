import java.io.IOException;
import java.lang.reflect.Field;
import java.lang.reflect.Method;
import java.lang.reflect.Modifier;
import java.nio.file.Files;
import java.nio.file.Path;
import java.util.ArrayList;
import java.util.List;
import java.util.Set;
import java.util.TreeSet;
import java.util.regex.Matcher;
import java.util.regex.Pattern;

/** The face of the document, and what of LANGUAGE.md a program can see. It is run where src is. */
public final class RulesTest {
    private static final String FACE =
        "long trace(); int all(int); int anew(); int back(int); int bundle(int,int); int chance(int,int,int); int clear();"
        + " int count(int); int doors(int); int edge(int,int); int fetch(int,int); int house(); int keep(int);"
        + " int last(int,int,int); int loads(int,int,int,int); int lost(int,int); int man(int,int); int one(int,int);"
        + " int place(int,int); int price(int,int); int room(int,int); int run(int,int,int); int saved(int);"
        + " int sure(int,int,int); int tune(int,int); int type(long,int); int way(int,int); int why(int,int);";

    public static void main(String[] args) throws IOException {
        theFace();
        theClasses();
        String code = bare(Files.readString(Path.of("src/main/java/CarryFirst.java")));
        theWords(code);
        theLibrary(code);
        theMethods(code);
        Checks.end();
    }

    private static void broken(String what) {
        Checks.due(what, 1, 0);
    }

    private static void theFace() {
        Set<String> want = new TreeSet<>(List.of(FACE.split("; ?")));
        Set<String> got = new TreeSet<>();
        Set<String> names = new TreeSet<>();
        for (Method m : CarryFirst.class.getDeclaredMethods()) {
            if (m.isSynthetic()) continue;
            if (Modifier.isPrivate(m.getModifiers())) continue;
            if (!Modifier.isPublic(m.getModifiers()) || Modifier.isStatic(m.getModifiers())) broken("a member " + m);
            StringBuilder s = new StringBuilder(m.getReturnType() + " " + m.getName() + "(");
            for (Class<?> c : m.getParameterTypes()) s.append(s.toString().endsWith("(") ? "" : ",").append(c);
            got.add(s + ")");
            names.add(m.getName());
        }
        if (!got.equals(want)) broken("the face is " + got);
        for (Class<?> c : allClasses()) {
            for (Method m : c.getDeclaredMethods()) {
                boolean own = c != CarryFirst.class || Modifier.isPrivate(m.getModifiers());
                if (own && names.contains(m.getName())) broken("a public name is borne by " + m);
            }
        }
        if (CarryFirst.class.getConstructors().length != 1) broken("constructors");
        if (CarryFirst.class.getDeclaredConstructors().length != 1) broken("constructors");
        Set<String> constants = new TreeSet<>();
        for (Field f : CarryFirst.class.getDeclaredFields()) {
            if (Modifier.isPrivate(f.getModifiers())) continue;
            constants.add(f.getName() + " " + Modifier.toString(f.getModifiers()));
        }
        if (constants.size() != 4) broken("constants " + constants);
        for (String c : constants) if (!c.matches("(BAD|STATE|FULL|NONE) public static final")) broken("constant " + c);
    }

    private static List<Class<?>> allClasses() {
        List<Class<?>> all = new ArrayList<>(List.of(CarryFirst.class.getDeclaredClasses()));
        all.add(CarryFirst.class);
        return all;
    }

    private static void theClasses() {
        if (allClasses().size() > 12) broken("more than twelve classes");
        for (Class<?> c : allClasses()) {
            int fields = 0;
            for (Field f : c.getDeclaredFields()) {
                boolean isStatic = Modifier.isStatic(f.getModifiers());
                if (isStatic && !Modifier.isFinal(f.getModifiers())) broken("not final: " + f);
                if (!isStatic) fields++;
            }
            if (fields > 20) broken("more than twenty fields in " + c);
            if (!Modifier.isFinal(c.getModifiers())) broken("not final: " + c);
            if (c != CarryFirst.class && !Modifier.isStatic(c.getModifiers())) broken("not static: " + c);
            if (c.getDeclaredClasses().length > 0 && c != CarryFirst.class) broken("a class inside " + c);
        }
    }

    /** Without comments and texts. */
    private static String bare(String source) {
        String noBlocks = source.replaceAll("(?s)/\\*.*?\\*/", "").replaceAll("//[^\n]*", "");
        return noBlocks.replaceAll("\"[^\"\n]*\"", "\"\"").replaceAll("'[^'\n]+'", "' '");
    }

    private static void theWords(String code) {
        Matcher m = Pattern.compile("\\b(throw|throws|try|catch|finally|synchronized|assert|import|package|float|double|record"
            + "|instanceof|yield|volatile|native|transient|System|Object|Thread|var)\\b|->|::|\"\" *\\+|\\+ *\"\"").matcher(code);
        while (m.find()) broken("what the rules leave out: " + m.group());
    }

    private static void theLibrary(String code) {
        Matcher dots = Pattern.compile("\\b([A-Z]\\w*[a-z]\\w*)\\.(\\w+)").matcher(code);
        while (dots.find()) {
            String call = dots.group(1) + "." + dots.group(2);
            if (!call.matches("Math\\.(max|min|abs)|Integer\\.bitCount")) broken("library: " + call);
        }
        Matcher made = Pattern.compile("\\bnew +(\\w+)").matcher(code);
        Set<String> own = new TreeSet<>(List.of("int"));
        for (Class<?> c : allClasses()) own.add(c.getSimpleName());
        while (made.find()) if (!own.contains(made.group(1))) broken("new " + made.group(1));
    }

    private static void theMethods(String code) {
        Matcher m = Pattern.compile("(?m)^ {4,8}(?:(?:public|private|static|final) )*(?:(?:int|long|boolean|void)(?:\\[\\])* )?"
            + "(\\w+)\\(([^)]*)\\) \\{$").matcher(code);
        int methods = 0;
        while (m.find()) {
            methods++;
            if (m.group(2).split(",").length > 7) broken("parameters of " + m.group(1));
            String indent = m.group().replaceAll("\\S.*", "").replace("\n", "");
            int end = code.indexOf("\n" + indent + "}", m.end());
            long lines = code.substring(m.start(), end).chars().filter(c -> c == '\n').count();
            if (lines > 60) broken("lines of " + m.group(1));
        }
        if (methods < 60) broken("methods seen: " + methods);
    }
}
