import java.io.IOException;
import java.nio.file.Files;
import java.nio.file.Path;
import java.util.regex.Matcher;
import java.util.regex.Pattern;

/** README.md's examples: each call there answers what the line says, and no line is left out here. */
public final class ReadmeTest {
  private static final Due due = new Due("ReadmeTest");
  // a call, and the answer that its comment begins with
  private static final Pattern LINE = Pattern.compile("^moon\\.(.+);\\s+// (-?\\d+): ", Pattern.MULTILINE);

  private final String readme;
  private final Matcher lines;

  private ReadmeTest(String readme) {
    this.readme = readme;
    this.lines = LINE.matcher(readme);
  }

  public static void main(String[] args) throws IOException {
    ReadmeTest test = new ReadmeTest(Files.readString(Path.of("README.md")));
    MoonRooms moon = new MoonRooms();
    test.tenants(moon);
    test.texts(moon);
    test.sheets(moon);
    due.is("README.md shows one more call", test.lines.find() ? 1 : 0, 0);
    test.helper(Files.readString(Path.of("src/test/java/Due.java")));
    test.names(Files.readString(Path.of("../shared/DOC.md")));
    due.end();
  }

  private void shown(String call, int got) {
    boolean found = lines.find();
    due.is("README.md's next call is " + call, found && lines.group(1).equals(call) ? 1 : 0, 1);
    if (found) {
      due.is(call + " of README.md", got, Long.parseLong(lines.group(2)));
    }
  }

  private void tenants(MoonRooms moon) {
    shown("tenant(12)", moon.tenant(12));
    shown("tenant(40)", moon.tenant(40));
    shown("lease(0, 0x008080)", moon.lease(0, 0x008080));
    shown("lease(1, 0x000080)", moon.lease(1, 0x000080));
    shown("clash()", moon.clash());
    shown("nights(4)", moon.nights(4));
    shown("ofTenant(0, 3)", moon.ofTenant(0, 3));
    shown("whole(0)", moon.whole(0));
    shown("lease(9, 0)", moon.lease(9, 0));
    shown("told(1)", moon.told(1));
  }

  private void texts(MoonRooms moon) {
    shown("feed(0x383D77, 3)", moon.feed(0x383D77, 3));
    shown("text(0)", moon.text(0));
    shown("law(0, 5, 5, 8)", moon.law(0, 5, 5, 8));
    shown("feed(0x2B72, 2)", moon.feed(0x2B72, 2));
    shown("text(1)", moon.text(1));
  }

  private void sheets(MoonRooms moon) {
    shown("sheet(0, 16, 2)", moon.sheet(0, 16, 2));
    shown("put(0, 0, 3)", moon.put(0, 0, 3));
    shown("put(0, 1, 1)", moon.put(0, 1, 1));
    shown("rooms(0, -1)", moon.rooms(0, -1));
    shown("rooms(0, 0)", moon.rooms(0, 0));
    shown("image()", moon.image());
    shown("leases(0)", moon.leases(0));
    shown("restore()", moon.restore());
    shown("ofTenant(0, 2)", moon.ofTenant(0, 2));
  }

  /** The text feeder that README.md shows is the one that the tests use. */
  private void helper(String source) {
    int from = readme.indexOf("static void feed(");
    int to = from < 0 ? -1 : readme.indexOf("```", from);
    String shown = to < 0 ? "?" : readme.substring(from, to);
    due.is("the feeder is that of the tests", plain(source).contains(plain(shown)) ? 1 : 0, 1);
  }

  private static String plain(String code) {
    return code.replaceAll("\\s+", " ").trim();
  }

  /** The table of all calls names each call of the document once. */
  private void names(String doc) {
    String table = readme.substring(Math.max(0, readme.indexOf("### All calls")));
    table = table.substring(0, Math.max(0, table.indexOf("## How to run")));
    Matcher call = Pattern.compile("^    public int (\\w+)\\(", Pattern.MULTILINE).matcher(doc);
    while (call.find()) {
      due.is(call.group(1) + " in the table", table.split("`" + call.group(1) + "`", -1).length - 1, 1);
    }
  }
}
