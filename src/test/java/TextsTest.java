/** Promises 12 to 14: the tape, texts, laws. */
public final class TextsTest {
  private static final Due due = new Due("TextsTest");

  public static void main(String[] args) {
    tape();
    values();
    signs();
    wraps();
    faults();
    openAtOnce();
    rents();
    rentsHeld();
    names();
    staying();
    due.end();
  }

  private static void tape() {
    MoonRooms x = new MoonRooms();
    due.is("feed of 0", x.feed(0x31, 0), Due.BEYOND);
    due.is("feed of 9", x.feed(0x31, 9), Due.BEYOND);
    due.is("feed of 1", x.feed(0x3231, 1), 1);
    due.is("feed of 2", x.feed(0x99332B, 2), 3);
    due.is("text 1+3", x.text(0), 1);
    due.is("law", x.law(0, 0, 0, 0), 4);
    due.is("the tape is empty", x.count(7), 0);
    for (int i = 1; i <= 6; i++) {
      due.is("feed of 8", x.feed(0x3131313131313131L, 8), 8 * i);
    }
    due.is("feed of 3", x.feed(0, 3), Due.FULL);
    due.is("no byte came", x.count(7), 48);
    due.is("feed of 2", x.feed(0, 2), 50);
    due.is("feed of 1", x.feed(0, 1), Due.FULL);
    due.is("text of no use", x.text(2), Due.BEYOND);
    due.is("text of use -1", x.text(-1), Due.BEYOND);
    due.is("the tape stays", x.count(7), 50);
    due.is("a number too long", x.text(0), -14);
    due.is("the tape is empty", x.count(7), 0);
  }

  private static void value(String text, int want) {
    MoonRooms x = new MoonRooms();
    due.is(text, Due.text(x, 0, text), 1);
    due.is(text + " by 7, 3, 0", x.law(0, 7, 3, 0), want);
  }

  private static void values() {
    value("0", 0);
    value("9999", 9999);
    value("0007", 7);
    value("n*10+p-w", 73);
    value("1-2-3", -4);
    value("2+3*4", 14);
    value("(2+3)*4", 20);
    value("17/5/2", 1);
    value("(0-17)/5", -3);
    value("(0-17)%5", -2);
    value("5/0", 0);
    value("5%0", 0);
    value("n/w+n%w", 0);
    value("9999*9999*9999", (int) (9999L * 9999 * 9999));
    value("2|0", 1);
    value("0|w", 0);
    value("0|0|5", 1);
    value("2&3", 1);
    value("2&0", 0);
    value("1|0&0", 1);
    value("1<2", 1);
    value("2<2", 0);
    value("2=2", 1);
    value("3=2", 0);
    value("3>2", 1);
    value("2>2", 0);
    value("1+1<1*3&n>p", 1);
    value("!0", 1);
    value("!7", 0);
    value("!!7", 1);
    value("!!!!!0", 1);
    value("(((((n)))))", 7);
    value("!(n=7)+5", 5);
    value("!n+!w", 1);
    value("(!(!w))", 0);
    // the least int, by -1, and what is left of it
    value("(8192*8192*32)/(0-1)", Integer.MIN_VALUE);
    value("(8192*8192*32)%(0-1)", 0);
    value("!1+!1+!1+!1+!1+!1+!0", 1);
    value("(1)+(1)+(1)+(1)+(1)+(1)", 6);
  }

  private static void signs() {
    value("1|0", 1);
    value("0|0", 0);
    value("0-1|0", 1);
    value("(0-1)&(0-2)", 1);
    value("!(0-1)", 0);
    value("0&0|1", 1);
    value("1|1&0", 1);
    value("3<2", 0);
    value("2>3", 0);
    value("2=3", 0);
    value("1<2&2<3", 1);
    value("(0|3)*5", 5);
    value("(1&0|1)*3", 3);
    value("(2&3)*5", 5);
    value("(1<2)*5", 5);
    value("(1+2)*5", 15);
    value("!(0|0)", 1);
    value("1&2=2", 1);
    value("0-1<0", 1);
    value("0>0-1", 1);
    value("1+2=3", 1);
    value("3-2-1", 0);
    value("2*3/4", 1);
    value("2*(3/4)", 0);
    value("7%4*2", 6);
    value("100/7%5", 4);
    value("10-2*3", 4);
    value("7/(0-2)", -3);
    value("7%(0-2)", 1);
    value("(0-7)/2", -3);
    value("(0-7)%2", -1);
    value("0/0", 0);
    value("0%0", 0);
    value("(5/0)+3", 3);
    value("!1*5", 0);
    value("!0*5", 5);
    value("!(0*5)", 1);
    value("0", 0);
    value("0000", 0);
    value("0010", 10);
    value("n", 7);
    value("p", 3);
    value("w", 0);
    value("n|p|w&w", 1);
    value("1|5/0", 1);
    value("w&5%0", 0);
  }

  private static void wraps() {
    value("8192*8192*32-1", Integer.MAX_VALUE);
    value("(8192*8192*32-1)+1", Integer.MIN_VALUE);
    value("0-8192*8192*32-1", Integer.MAX_VALUE);
    value("8192*8192*64", 0);
    value("9999*9999*99", (int) (9999L * 9999 * 99));
    value("(8192*8192*32)*(0-1)", Integer.MIN_VALUE);
    value("8192*8192*32<0", 1);
    MoonRooms x = new MoonRooms();
    Due.text(x, 0, "n+p-w");
    due.is("names that wrap", x.law(0, Integer.MAX_VALUE, 1, 0), Integer.MIN_VALUE);
    due.is("names that wrap", x.law(0, Integer.MIN_VALUE, 0, 1), Integer.MAX_VALUE);
    Due.text(x, 0, "n/p");
    due.is("the least by -1", x.law(0, Integer.MIN_VALUE, -1, 0), Integer.MIN_VALUE);
    due.is("by 0", x.law(0, Integer.MIN_VALUE, 0, 0), 0);
    Due.text(x, 0, "n%p");
    due.is("the least's rest by -1", x.law(0, Integer.MIN_VALUE, -1, 0), 0);
    due.is("a rest by 0", x.law(0, 7, 0, 0), 0);
    Due.text(x, 0, "n<p");
    due.is("the least is less", x.law(0, Integer.MIN_VALUE, Integer.MAX_VALUE, 0), 1);
    Due.text(x, 0, "n>p");
    due.is("the greatest is greater", x.law(0, Integer.MAX_VALUE, Integer.MIN_VALUE, 0), 1);
    Due.text(x, 0, "n*p");
    due.is("a product goes round", x.law(0, 65536, 65536, 0), 0);
  }

  private static void openAtOnce() {
    value("(!(!(0)))", 0);
    value("!!(!(0))", 1);
    fault(0, "!!(!(!0))", 5);
    value("!(((!0)))", 0);
    value("!!!!!n", 0);
    value("(((((1)))))+(((((2)))))", 3);
    value("((((!n))))", 0);
    value("!!!!!0+!!!!!0*!!!!!1", 1);
    // as much as 50 bytes can hold back: four levels that each wait for their last number
    value("0|1&1<1+1*(0|1&1<1+1*(0|1&1<1+1*(0|1&1<1+1*(2))))", 1);
    value("1-(2-(3-(4-(5-(6)))))", 1-(2-(3-(4-(5-6)))));
    fault(0, "(((((!1)))))", 5);
    fault(0, "!!!!!(1)", 5);
    fault(0, "!!!!!!", 5);
    fault(0, "((((((", 5);
    fault(0, "(!(!((1", 5);
    fault(0, "(((((1))))))", 11);
    fault(0, "(((((1)))))+((((((1))))))", 17);
    fault(0, "!!!!!1+!!!!!!1", 12);
    fault(0, "!!!!!", 5);
    fault(0, "(((((1))))", 10);
  }

  private static void fault(int use, String text, int want) {
    MoonRooms x = new MoonRooms();
    due.is("fault of " + text, Due.text(x, use, text), -10 - want);
    due.is("nothing stays", x.law(use, 0, 7, 0), use == 0 ? 0 : 2);
  }

  private static void faults() {
    fault(0, "", 0);
    fault(0, " 1", 0);
    fault(0, "1 ", 1);
    fault(0, "12345", 4);
    fault(0, "00000", 4);
    fault(0, "1<2<3", 3);
    fault(0, "1=2>3", 3);
    fault(0, "1<", 2);
    fault(0, "1+*2", 2);
    fault(0, "-1", 0);
    fault(0, "n1", 1);
    fault(0, "1n", 1);
    fault(0, "r", 0);
    fault(0, "1+q", 2);
    fault(1, "n", 0);
    fault(1, "c+p", 2);
    fault(0, "()", 1);
    fault(0, "(1", 2);
    fault(0, "(1))", 3);
    fault(0, "1)", 1);
    fault(0, "!", 1);
    fault(0, "!)", 1);
    fault(0, "1!", 1);
    fault(0, "1||2", 2);
    fault(0, "((((((1))))))", 5);
    fault(0, "!!!!!!1", 5);
    fault(0, "!(!(!(1)))", 5);
    fault(0, "(!(!(1", 6);
    fault(0, "(((((", 5);
    fault(0, "1234n", 4);
    fault(0, "1+99999", 6);
    fault(0, "n+", 2);
    fault(0, "n-", 2);
    fault(0, "n*", 2);
    fault(0, "n/", 2);
    fault(0, "n%", 2);
    fault(0, "n&", 2);
    fault(0, "n|", 2);
    fault(0, "n=", 2);
    fault(0, "n>", 2);
    fault(0, "n<<", 2);
    fault(0, "n==n", 2);
    fault(0, "n<n&n<n<n", 7);
    fault(0, "(n<n<n)", 4);
    fault(0, "1=1=1=", 3);
    fault(0, "n+n<n-n>", 7);
    fault(0, "n n", 1);
    fault(0, "1 +1", 1);
    fault(0, "1+ 1", 2);
    fault(0, "np", 1);
    fault(0, "n(1)", 1);
    fault(0, "(1)(1)", 3);
    fault(0, "(1)1", 3);
    fault(0, "(1)n", 3);
    fault(0, "N", 0);
    fault(0, "1/", 2);
    fault(0, "1:", 1);
    fault(0, ":", 0);
    fault(0, "/", 0);
    fault(0, "1\0", 1);
    fault(0, "\0", 0);
    fault(1, "r+c+q+w", 6);
    fault(1, "p", 0);
    fault(1, "w", 0);
    fault(0, "c", 0);
    fault(0, "q", 0);
    fault(0, "1\u00ff", 1);
    fault(0, "\u00b1", 0);
  }

  private static void rents() {
    MoonRooms x = new MoonRooms();
    due.is("without a text", x.law(1, 0, 8, 0), 3);
    due.is("held without a text", x.law(1, 0, 1000, 0), 99);
    due.is("held without a text", x.law(1, 0, -9, 0), 0);
    due.is("text", Due.text(x, 1, "r*100+c*10+q"), 1);
    due.is("law", x.law(1, 0, 4, 2), 42);
    due.is("law", x.law(1, 1, 0, 0), 99);
    due.is("law", x.law(1, 0, 0, -1), 0);
    due.is("law of no use", x.law(2, 0, 0, 0), Due.BEYOND);
    due.is("law of use -1", x.law(-1, 0, 0, 0), Due.BEYOND);
    Due.text(x, 0, "n+p*0");
    due.is("any number", x.law(0, Due.BEYOND, 0, 0), Due.BEYOND);
    due.is("which is no error", x.told(1), 2);
  }

  private static int rentOf(String text, int r, int c, int q) {
    MoonRooms x = new MoonRooms();
    Due.text(x, 1, text);
    return x.law(1, r, c, q);
  }

  private static void rentsHeld() {
    due.is("0 is held", rentOf("0", 0, 0, 0), 0);
    due.is("-1 isn't", rentOf("0-1", 0, 0, 0), 0);
    due.is("99 is held", rentOf("99", 0, 0, 0), 99);
    due.is("100 isn't", rentOf("100", 0, 0, 0), 99);
    due.is("the least int", rentOf("c", 0, Integer.MIN_VALUE, 0), 0);
    due.is("the greatest int", rentOf("q", 0, 0, Integer.MAX_VALUE), 99);
    MoonRooms x = new MoonRooms();
    int[] c = {0, 3, 4, 7, -1, -3, -4, -7};
    int[] want = {1, 1, 2, 2, 1, 1, 0, 0};
    for (int i = 0; i < c.length; i++) {
      due.is("1+c/4, cut, of " + c[i], x.law(1, 5, c[i], 6), want[i]);
    }
    Due.text(x, 1, "100");
    due.is("of a CELL, held", x.ofCell(0, 2), 99);
    Due.text(x, 1, "1-c");
    due.is("of a CELL, held", x.ofCell(7, 2), 0);
    x.tenant(0);
    x.lease(0, 0x87);
    due.is("held CELL by CELL", x.ofTenant(0, 7), 1);
  }

  private static void names() {
    MoonRooms x = new MoonRooms();
    due.is("without a TEXT", x.law(0, 1, 2, 3), 0);
    String[] clouds = {"n", "p", "w"};
    String[] rents = {"r", "c", "q"};
    for (int i = 0; i < 3; i++) {
      Due.text(x, 0, clouds[i]);
      due.is(clouds[i], x.law(0, 11, 22, 33), 11 * (i + 1));
      Due.text(x, 1, rents[i]);
      due.is(rents[i], x.law(1, 11, 22, 33), 11 * (i + 1));
    }
    due.is("any number", x.law(0, 0, 0, Due.LOW - 3), Due.LOW - 3);
    due.is("any number", x.law(0, 0, 0, Integer.MIN_VALUE), Integer.MIN_VALUE);
    due.is("is no ERROR", x.told(3), 0);
    MoonRooms y = Worlds.at(37);
    y.weather(6);
    for (String text : new String[] {"n=37", "p=5", "w=6"}) {
      Due.text(y, 0, text);
      due.is("clouds by " + text, y.count(5), 0);
      Due.text(y, 0, "!(" + text + ")");
      due.is("no clouds by " + text, y.count(5), 15);
    }
  }

  private static void staying() {
    MoonRooms x = new MoonRooms();
    Due.text(x, 0, "8");
    due.is("a fault", Due.text(x, 0, "9+"), -12);
    due.is("the one ahead stays", x.law(0, 0, 0, 0), 8);
    due.is("a fault is no error", x.told(1) + x.told(2) + x.told(3) + x.told(4) + x.told(5), 0);
    due.is("the other use has none", x.law(1, 0, 0, 0), 1);
    due.is("in place of one ahead", Due.text(x, 0, "n"), 1);
    due.is("law", x.law(0, 6, 0, 0), 6);
    Due.feed(x, "5");
    due.is("of another use", x.text(1), 1);
    due.is("law 1", x.law(1, 0, 0, 0), 5);
    due.is("law 0 stays", x.law(0, 6, 0, 0), 6);
    due.is("a FAULT of an empty tape", x.text(1), -10);
    due.is("law 1 stays", x.law(1, 0, 0, 0), 5);
    Due.feed(x, "8)");
    due.is("BEYOND", x.text(2), Due.BEYOND);
    due.is("the tape stays", x.text(1), -11);
    due.is("and is empty behind a FAULT", x.count(7), 0);
    due.is("feed(.., 8), the lowest byte first", x.feed(0x3D30302A392B3131L, 8), 8);
    due.is("feed of a byte above 127", x.feed(-1L, 1), 9);
    due.is("a FAULT there", x.text(0), -18);
    due.is("feed of one byte of two", x.feed(0x3231, 1), 1);
    due.is("text", x.text(0), 1);
    due.is("law", x.law(0, 0, 0, 0), 1);
    Due.text(x, 0, "n");
    MoonRooms y = new MoonRooms();
    due.is("feed", y.feed(0x3837363534333231L, 4), 4);
    due.is("text", y.text(0), 1);
    due.is("four bytes, the lowest first", y.law(0, 0, 0, 0), 1234);
  }
}
