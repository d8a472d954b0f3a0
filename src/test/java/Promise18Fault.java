/** Promise 18: fault; and what a text is. */
public final class Promise18Fault implements Codes {
  private static final String TEXT = "text = request { \";\" request }";
  private static final String REQUEST = "request = \"w\" address \"=\" number | \"r\" address";
  private static final String ADDRESS = "an address is a number from 0 to 191";
  private static final String NUMBER = "a number 0 to 255";
  private static final String ZEROS = "without leading zeros";
  private static final String INDEX =
      "The fault is the index of the first character that cannot stand at its place when the text is read from left to right";
  private static final String GREAT = "(also of a digit by which a number would be too great)";
  private static final String EARLY = "if there is none and the text ends too early (also if it is empty), it is the length of the text";

  public static void main(String[] args) {
    Sentences s = new Sentences();
    whole(s, TEXT, "r0;r0", "w5=5;r5", "r5;w5=5", "r1;r2;r3;w4=4;w5=5;r6", "w10=10;w20=20", "r190;w0=0;r0");
    whole(s, REQUEST, "r0", "w0=0", "r191", "w191=255", "r10", "w7=0", "w0=7");
    whole(s, ADDRESS, "r0", "r9", "r10", "r99", "r100", "r189", "r190", "r191", "w0=1", "w191=1");
    whole(s, NUMBER, "w1=0", "w1=9", "w1=10", "w1=99", "w1=100", "w1=199", "w1=200", "w1=249", "w1=250", "w1=255");
    // The mark stands ahead of the character that is the fault.
    faulty(s, ADDRESS, "r19^2", "r19^9", "r20^0", "r99^9", "w19^2=1", "w20^0=1", "r191^0", "r100^0", "r1;w19^3=4");
    faulty(s, NUMBER, "w1=25^6", "w1=26^0", "w1=30^0", "w1=99^9", "w1=255^0", "w1=100^0", "w0=255;w1=25^6");
    faulty(s, ZEROS, "r0^0", "r0^1", "w0^0=1", "w0^1=1", "w1=0^0", "w1=0^1", "r1;r0^5", "w1=1;w0^2=2");
    faulty(s, TEXT, "^;", "^;r1", "r1;^;r2", "w1=1;^;", "r1^,r2", "r1^!r2", "r1^r2", "w1=1^w2=2", "w1=1^r2", "r1;r2^&r3");
    faulty(s, REQUEST, "^0", "^=", "^1=1", "^W1=1", "^R1", "^v1", "^x1", "^q1", "^s1", "w^=1", "w^;", "w^w1", "r^;", "r^r", "r^=",
        "r^-1", "w^+1=1", "w1^;", "w1^r", "w1^-1", "w1=^;", "w1=^=", "w1=^-1", "w1=^w", "w1=1^=", "w1=1^=1", "r1^=", "r1^=2", "r191^=0");
    faulty(s, INDEX, "^x", "r1;^x", "r^/", "r^:", "w^/", "w^:", "w1^/", "w1^:", "w1^<", "w1^>", "w1=^/", "w1=^:", "w1=1^/",
        "w1=1^:", "r1^/", "r1^:", "r1^<", "^!", "^~", "r1;w2=3;r0^0;x", "^xr192", "r19^2x;", "w1=2^x=2");
    faulty(s, GREAT, "r19^2", "r19^2;r1", "w1=25^6;r1", "r1;r20^0;", "w1=2;w1=26^0");
    faulty(s, EARLY, "^", "w^", "r^", "w1^", "w0^", "w191^", "w1=^", "w191=^", "r1;^", "w1=1;^", "w1=1;r^", "w1=1;r2;w3^", "w1=1;r2;w3=^");
    s.test(18, ADDRESS, "every number from 0 to 300, to write and to read", Promise18Fault::allAddresses);
    s.test(18, NUMBER, "every number from 0 to 300", Promise18Fault::allNumbers);
    s.test(18, EARLY, "58, 59 and 60 characters", Promise18Fault::longTexts);
    s.test(18, "Returns the fault of the pad, NONE if there is none.", "NONE, then a fault, then NONE, as it grows", Promise18Fault::asItGrows);
    s.test(18, "Returns the fault of the pad, NONE if there is none.", "NONE also if its requests will be passed over",
        due -> due.is(faultOf(due, "r0;r191"), NONE));
    s.test(18, "Returns the fault of the pad, NONE if there is none.", "nothing changes", due -> {
      due.unchanged(due.busy(), Run::fault);
      Run x = due.busy();
      x.put('x');
      due.unchanged(x, r -> due.is(r.fault(), 9));
    });
    s.end();
  }

  private static void whole(Sentences s, String sentence, String... texts) {
    for (String text : texts) s.test(18, sentence, text + " has no fault", due -> due.is(faultOf(due, text), NONE));
  }

  private static void faulty(Sentences s, String sentence, String... texts) {
    for (String marked : texts) {
      String text = marked.replace("^", "");
      int fault = marked.indexOf('^');
      s.test(18, sentence, "[" + text + "] has the fault " + fault, due -> due.is(faultOf(due, text), fault));
    }
  }

  private static int faultOf(Due due, String text) {
    Run x = due.fresh();
    x.type(text);
    return x.fault();
  }

  private static void allAddresses(Due due) {
    for (int number = 0; number <= 300; number++) {
      int digits = String.valueOf(number).length();
      due.is("fault() of r" + number, faultOf(due, "r" + number), number <= 191 ? NONE : digits);
      due.is("fault() of w" + number + "=1", faultOf(due, "w" + number + "=1"), number <= 191 ? NONE : digits);
    }
  }

  private static void allNumbers(Due due) {
    for (int number = 0; number <= 300; number++) {
      int digits = String.valueOf(number).length();
      due.is("fault() of w7=" + number, faultOf(due, "w7=" + number), number <= 255 ? NONE : 2 + digits);
    }
  }

  private static void longTexts(Due due) {
    String text = "r1;r2;r3;r4;r5;r6;r7;r8;r9;r0;r1;r2;r3;r4;r5;r6;r7;r8;r9;r11";
    due.is("the length", text.length(), 60);
    due.is(faultOf(due, text), NONE);
    due.is(faultOf(due, text.substring(0, 59)), NONE);
    due.is(faultOf(due, text.substring(0, 58)), 58);
    due.is(faultOf(due, text.substring(0, 59) + ";"), 60);
    due.is(faultOf(due, text.substring(0, 59) + "x"), 59);
  }

  private static void asItGrows(Due due) {
    String text = "w19=25;r1";
    int[] faults = {1, 2, 3, 4, NONE, NONE, 7, 8, NONE};
    Run x = due.fresh();
    for (int i = 0; i < text.length(); i++) {
      x.put(text.charAt(i));
      due.is(x.fault(), faults[i]);
    }
    x.put('x');
    due.is(x.fault(), 9);
    x.put(';');
    due.is(x.fault(), 9);
    x.wipe();
    due.is(x.fault(), 0);
  }
}
