/** The error codes as the document has them, so that a test does not take them from the class it tests. */
interface Codes {
    int NO_SUCH_FORM = -10001;
    int NO_SUCH_REGISTER = -10002;
    int BAD_VALUE = -10003;
    int FULL = -10004;
    int OVERFLOW = -10005;
    int NOT_POSITIVE = -10006;
    int REDUCIBLE = -10007;
    int NONE = -10008;
    long NO_VALUE = Long.MIN_VALUE;
}
