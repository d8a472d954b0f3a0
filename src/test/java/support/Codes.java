/** The numbers of the document, written out here, so that a wrong constant in the class does not hide itself. */
interface Codes {
  int NO_SUCH = -1, BAD_VALUE = -2, BAD_TEXT = -3, TOO_MANY = -4, NOT_POSSIBLE = -5, NONE = -6;

  /** The settings. */
  int HEAT = 0, FAR = 1, LOST = 2, WEAR = 3, STEP = 4;

  /** What sector() tells. */
  int TRACK = 0, PLACE = 1, HOLDS = 2, BLUR = 3, TIMES = 4, HAS_SPARE = 5, READABLE = 6;

  /** What track() tells. */
  int FILLED_ON = 0, UNREADABLE_ON = 1, BLUR_ON = 2, WRITINGS_ON = 3;

  /** What count() tells, behind the settings. */
  int TICKS = 5, HEAD = 6, UNDER_HEAD = 7, SPARES = 8, FILLED = 9, UNREADABLE = 10, WRITINGS = 11, READS = 12,
      LAND = 13, GROOVE = 14, GREATEST_BLUR = 15, PAD = 16, UNDOS = 17;

  int LEAST = Integer.MIN_VALUE, MOST = Integer.MAX_VALUE;
}
