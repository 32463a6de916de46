import java.lang.reflect.Constructor;
import java.lang.reflect.Method;
import java.lang.reflect.Modifier;
import java.nio.file.Files;
import java.nio.file.Path;
import java.util.Arrays;
import java.util.Set;
import java.util.TreeSet;

/** The face of the class is the document's, and there is nothing beside it. */
public final class FaceTest {
    private static final Set<String> FACE = new TreeSet<>(Arrays.asList(
        "int feed(int,long) IllegalArgumentException IllegalStateException", "int wipe()", "int load()",
        "int type() IllegalStateException", "void poke(long,int,long) IllegalArgumentException NoSuchElementException",
        "long peek(long) NoSuchElementException", "void set(int,long) IllegalArgumentException",
        "long get(int) IllegalArgumentException", "void lower(int) IllegalArgumentException",
        "long control(int) IllegalArgumentException", "void order(int,long) IllegalArgumentException",
        "void raise(int,boolean) IllegalArgumentException", "int step(int) IllegalArgumentException",
        "long translate(long,int) IllegalArgumentException", "int look(int) IllegalArgumentException",
        "int out(int) NoSuchElementException"));
    private static final Path DOCUMENT = Path.of("../shared/DOC.md");

    private static String written(Method m) {
        StringBuilder text = new StringBuilder(m.getReturnType() + " " + m.getName() + "(");
        for (Class<?> c : m.getParameterTypes()) {
            text.append(text.charAt(text.length() - 1) == '(' ? "" : ",").append(c);
        }
        text.append(")");
        for (Class<?> c : m.getExceptionTypes()) {
            text.append(" ").append(c.getSimpleName());
        }
        return text.toString();
    }

    /** Each line of the document's face begins a member of the class, word by word. */
    private static void documentsFace() throws java.io.IOException {
        if (!Files.isReadable(DOCUMENT)) {
            System.out.println(DOCUMENT + " is not here: the face is not looked up");
            return;
        }
        String text = Files.readString(DOCUMENT);
        int begin = text.indexOf("```java");
        String source = Files.readString(Path.of("src/main/java/HartBoard.java"));
        int members = 0;
        for (String line : text.substring(begin, text.indexOf("```", begin + 3)).split("\n")) {
            if (line.startsWith("    public ")) {
                members++;
                Check.due("the class has" + line, source.contains("\n" + line.replace(";", " {") + "\n"));
            }
        }
        Check.due("members of the document's face", members, FACE.size() + 1);
    }

    public static void main(String[] args) throws java.io.IOException {
        documentsFace();
        Set<String> open = new TreeSet<>();
        Set<String> names = new TreeSet<>();
        for (Method m : HartBoard.class.getDeclaredMethods()) {
            if (!Modifier.isPrivate(m.getModifiers())) {
                open.add(written(m));
                names.add(m.getName());
                Check.due(m + " is public and no static", m.getModifiers() == Modifier.PUBLIC);
            }
        }
        Check.due("the methods are " + open, open.equals(FACE));
        for (Method m : HartBoard.class.getDeclaredMethods()) {
            boolean hidden = Modifier.isPrivate(m.getModifiers());
            Check.due(m + " has a name of its own", !hidden || !names.contains(m.getName()));
        }
        Constructor<?>[] all = HartBoard.class.getDeclaredConstructors();
        Check.due("constructors", all.length, 1);
        Check.due("it is public", all[0].getModifiers() == Modifier.PUBLIC);
        Check.due("the class is public and final",
            HartBoard.class.getModifiers() == (Modifier.PUBLIC | Modifier.FINAL));
        for (java.lang.reflect.Field field : HartBoard.class.getDeclaredFields()) {
            Check.due(field + " is private", Modifier.isPrivate(field.getModifiers()));
        }
        Class<?>[] inside = HartBoard.class.getDeclaredClasses();
        Check.due("classes in the file are some twelve", inside.length + 1 <= 15);
        for (Class<?> c : inside) {
            int m = c.getModifiers();
            Check.due(c + " is not open", !Modifier.isPublic(m) && !Modifier.isProtected(m));
            for (Method own : c.getDeclaredMethods()) {
                boolean hidden = Modifier.isPrivate(own.getModifiers());
                Check.due(own + " has a name of its own", !hidden || !names.contains(own.getName()));
                Check.due(own + " takes at most seven", own.getParameterCount() <= 7);
            }
            for (java.lang.reflect.Field field : c.getDeclaredFields()) {
                int how = field.getModifiers();
                Check.due(field + " is final if it is static", !Modifier.isStatic(how) || Modifier.isFinal(how));
            }
        }
        Check.end();
    }
}
