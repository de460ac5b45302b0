import java.io.IOException;
import java.lang.reflect.Constructor;
import java.lang.reflect.Method;
import java.lang.reflect.Modifier;
import java.nio.file.Files;
import java.nio.file.Path;
import java.util.TreeSet;
import java.util.regex.Matcher;
import java.util.regex.Pattern;

/** The face that the document prints, and the rules of LANGUAGE.md that can be seen in the text. */
public final class FaceTest {
  private static final Due due = new Due("FaceTest");

  public static void main(String[] args) throws IOException {
    face(Files.readString(Path.of("../shared/DOC.md")));
    insideClasses();
    words(Files.readString(Path.of("src/main/java/MoonRooms.java")));
    due.end();
  }

  private static void face(String doc) {
    TreeSet<String> want = new TreeSet<>();
    Matcher line = Pattern.compile("^    public int (\\w+)\\(([^)]*)\\);$", Pattern.MULTILINE).matcher(doc);
    while (line.find()) {
      StringBuilder types = new StringBuilder();
      for (String part : line.group(2).split(", ")) {
        types.append(part.isEmpty() ? "" : part.split(" ")[0] + " ");
      }
      want.add(line.group(1) + " " + types);
    }
    TreeSet<String> got = new TreeSet<>();
    for (Method m : MoonRooms.class.getDeclaredMethods()) {
      StringBuilder types = new StringBuilder();
      for (Class<?> type : m.getParameterTypes()) {
        types.append(type.getName()).append(' ');
      }
      if (!Modifier.isPrivate(m.getModifiers())) {
        boolean plain = m.getModifiers() == Modifier.PUBLIC && m.getReturnType() == int.class;
        got.add(m.getName() + " " + types + (plain ? "" : "?"));
      } else {
        due.is(m.getName() + " bears a public name", doc.contains("public int " + m.getName() + "(") ? 1 : 0, 0);
      }
    }
    due.is("calls of the document", want.size(), 40);
    due.is("the face " + got + " as " + want, got.equals(want) ? 1 : 0, 1);
    Constructor<?>[] made = MoonRooms.class.getDeclaredConstructors();
    due.is("constructors", made.length, 1);
    due.is("public, of nothing", made[0].getModifiers() == Modifier.PUBLIC ? made[0].getParameterCount() : -1, 0);
    due.is("public and final", MoonRooms.class.getModifiers(), Modifier.PUBLIC | Modifier.FINAL);
    for (java.lang.reflect.Field f : MoonRooms.class.getDeclaredFields()) {
      due.is(f.getName() + " is private", f.getModifiers() & Modifier.PRIVATE, Modifier.PRIVATE);
    }
  }

  private static void insideClasses() {
    Class<?>[] inside = MoonRooms.class.getDeclaredClasses();
    due.is("at most twelve classes", inside.length + 1 <= 12 ? 1 : 0, 1);
    for (Class<?> c : inside) {
      due.is(c.getName() + " is static", c.getModifiers() & Modifier.STATIC, Modifier.STATIC);
      due.is(c.getName() + " isn't public", c.getModifiers() & Modifier.PUBLIC, 0);
    }
  }

  private static void words(String source) {
    String code = source.replaceAll("(?s)/\\*.*?\\*/", "").replaceAll("//[^\n]*", "").replaceAll("'.'", "0");
    Matcher word = Pattern.compile("\\b(throw|throws|try|catch|finally|synchronized|assert|import|package|var"
        + "|volatile|native|transient|instanceof|hashCode|toString|\\w+Exact)\\b|->|::|\"|@").matcher(code);
    while (word.find()) {
      due.is("the code says " + word.group(), 1, 0);
    }
    for (int i = 0; i < source.length(); i++) {
      char c = source.charAt(i);
      if (c > 126 || c < 32 && c != '\n') {
        due.is("a sign at " + i, c, 0);
      }
    }
    methods(source.split("\n"));
  }

  private static void methods(String[] lines) {
    int from = -1;
    for (int i = 0; i < lines.length; i++) {
      if (lines[i].matches(" {4,8}[\\w\\[\\]].*\\(.*\\) \\{")) {
        from = i;
      } else if (lines[i].matches(" {4,8}\\}") && from >= 0) {
        due.is("lines of " + lines[from].trim(), i - from > 60 ? i - from : 0, 0);
        from = -1;
      }
    }
  }
}
